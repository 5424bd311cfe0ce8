import java.util.List;

/** The boundary cases of what an object keeps: promises 43 and 53 to 56, and its 512 calls. */
public final class BoundaryKeptTest {
    private static final String BE = "The STATE that IS another one (it does not change the DIARY): what it was.";
    private static final String IMAGE = "An IMAGE of the STATE that IS, QUESTIONS, the GOAL, DIARY, HEARSAY, offers: how many there are; "
            + "-1: there are 3.";
    private static final String RESTORE = "All is as in the latest IMAGE, which is gone: how many are left; -1: there is none.";
    private static final String STATUS = "How many calls were refused: 0 NoSuchElementException, 1 IllegalArgumentException; NONE for "
            + "others. (No IMAGE keeps it.)";
    private static final String COUNT = "0 IMAGES, 1 bytes of the TAPE; NONE for others.";
    private static final String CALLS = "An object is used for at most 512 calls after it has been made; what later calls answer is "
            + "free.";

    public static void main(String[] args) {
        cases().play();
    }

    static Cases cases() {
        return Cases.of(BoundaryKeptTest.class);
    }

    /** What an image keeps, without the tape, the fault and how many images there are. */
    private static List<Long> kept(BitWells x) {
        List<Long> all = Cases.digest(x);
        return all.subList(0, all.size() - 3);
    }

    // ---- be

    @Cases.Says(BE)
    static void p43_be_whatItWas() {
        BitWells x = Cases.land("place;well 0 a;well 0 a;vein 0 1 0 0;vein 0 1 0 0;is 63;");
        Cases.due("as told", 63, x.be(0));
        Cases.due("the first", 0, x.be(0));
        Cases.due("the first again", 0, x.be(63));
        Cases.due("the last", 63, x.be(5));
        Cases.due("told", 5, x.told(5));
    }

    @Cases.Says(BE)
    static void p43_be_theDiaryStays() {
        BitWells x = Cases.land("atoms 1;place;well 0 a;", "a");
        x.ask(0, 0, 0);
        x.be(1);
        Cases.due("answers", 1, x.told(6));
        Cases.due("what it said", 0, x.diary(0, 2));
        Cases.due("left", 1, x.left());
        Cases.due("it is not asked anew", -1, x.ask(0, 0, 0));
    }

    @Cases.Says(BE)
    static void p43_be_theLastOfTheLeast() {
        BitWells x = Cases.land("atoms 1;");
        Cases.due("1 of 2", 0, x.be(1));
        Cases.refused("2 of 2", Cases.WRONG, () -> x.be(2));
        Cases.due("as it was", 1, x.told(5));
    }

    // ---- images

    @Cases.Says(IMAGE)
    static void p53_image_3And4() {
        BitWells x = Cases.land("place;well 0 a;");
        for (int many = 1; many <= 3; many++) {
            Cases.due("image " + many, many, x.image());
        }
        x.be(7);
        Cases.due("one more", -1, x.image());
        Cases.due("there are 3", 3, x.count(0));
        Cases.due("it is not refused", 0, x.status(0) + x.status(1));
        x.restore();
        Cases.due("nothing was done", 0, x.told(5));
    }

    @Cases.Says({IMAGE, RESTORE})
    static void p53_image_whenThereAre3NoMore() {
        BitWells x = Cases.land("place;");
        for (int many = 1; many <= 3; many++) {
            x.be(many);
            x.image();
        }
        Cases.due("two left", 2, x.restore());
        Cases.due("the third", 3, x.told(5));
        x.be(9);
        Cases.due("another", 3, x.image());
        Cases.due("one more", -1, x.image());
        x.be(0);
        x.restore();
        Cases.due("the latest", 9, x.told(5));
        x.restore();
        Cases.due("the second", 2, x.told(5));
        x.restore();
        Cases.due("the first", 1, x.told(5));
    }

    @Cases.Says({IMAGE, RESTORE})
    static void p53_image_ofANewObject() {
        BitWells x = new BitWells();
        Cases.due("one", 1, x.image());
        Cases.question(x, 0, "a");
        Cases.aim(x, "a or not a");
        x.be(9);
        Cases.due("none left", 0, x.restore());
        Cases.due("no question", 0, x.states(0, 0));
        Cases.due("no goal", 0, x.known(0));
        Cases.due("the state", 0, x.told(5));
    }

    @Cases.Says({IMAGE, RESTORE})
    static void p54_restore_allThatIsInIt() {
        BitWells x = Cases.rich();
        List<Long> want = kept(x);
        Cases.due("two", 2, x.image());
        x.be(2);
        Cases.emptyTape(x);
        Cases.question(x, 0, "b");
        Cases.question(x, 4, "a");
        Cases.goal(x, "b");
        x.tear(0);
        x.ask(2, 2, 9);
        x.deaf();
        x.hear(0, 1, 0, 1);
        x.hear(0, 3, 0, 0);
        x.hear(0, 0, 0, 1);
        x.offer(2, 1, 0);
        x.offer(1, 2, 99);
        Cases.so("all is unlike", true, !want.equals(kept(x)));
        Cases.due("one left", 1, x.restore());
        Cases.same("what was restored", want, kept(x));
    }

    @Cases.Says(RESTORE)
    static void p54_restore_thereIsNone() {
        BitWells x = Cases.rich();
        Cases.due("the one", 0, x.restore());
        List<Long> before = Cases.digest(x);
        Cases.due("none", -1, x.restore());
        Cases.due("none again", -1, x.restore());
        Cases.same("no image", before, Cases.digest(x));
        Cases.due("none in a new object", -1, new BitWells().restore());
        Cases.due("it is not refused", 0, x.status(0) + x.status(1));
    }

    @Cases.Says(RESTORE)
    static void p54_restore_theLatestGoes() {
        BitWells x = Cases.land("place;");
        x.be(1);
        x.image();
        x.be(2);
        x.image();
        Cases.due("one left", 1, x.restore());
        Cases.due("none left", 0, x.restore());
        Cases.due("the first", 1, x.told(5));
        Cases.due("an image anew", 1, x.image());
    }

    @Cases.Says({RESTORE, COUNT})
    static void p54_restore_theTapeStays() {
        BitWells x = Cases.rich();
        int bytes = x.count(1);
        x.restore();
        Cases.due("bytes", bytes, x.count(1));
        Cases.due("byte for byte", 1, x.goal(1));
    }

    @Cases.Says(RESTORE)
    static void p54_restore_aFullDiaryAndFullHearsay() {
        BitWells x = Cases.land("place;well 0 a;", "a");
        for (int day = 0; day < 60; day++) {
            x.ask(0, 0, day);
            x.hear(0, 0, day, 0);
        }
        x.image();
        x.tear(0);
        x.deaf();
        x.ask(0, 0, 100);
        Cases.due("none left", 0, x.restore());
        Cases.due("answers", 60, x.told(6));
        Cases.due("the last", 59, x.diary(59, 1));
        Cases.due("hearsay", 10, x.told(7));
        Cases.due("full", -2, x.ask(0, 0, 100));
        Cases.due("full", -1, x.hear(0, 0, 0, 0));
    }

    @Cases.Says({RESTORE, "(what the DIARY and HEARSAY tell was of the QUESTIONS as they were then)"})
    static void p54_restore_theDiaryTellsOfQuestionsAsTheyWere() {
        BitWells x = Cases.land("atoms 2;place;well 0 ab;", "a");
        x.ask(0, 0, 0);
        Cases.question(x, 0, "b");
        x.image();
        x.tear(0);
        Cases.question(x, 0, "a and b");
        x.restore();
        Cases.due("the question", 12, x.states(0, 0));
        Cases.due("left by the one that was asked", 5, x.left());
    }

    // ---- status, count

    @Cases.Says(STATUS)
    static void p55_status_0AtFirstAndNONEForOthers() {
        BitWells x = new BitWells();
        int[] want = {0, 0, -1, -1};
        for (int what = 0; what < 4; what++) {
            Cases.due("status " + what, want[what], x.status(what));
        }
        Cases.due("status -1", -1, x.status(-1));
    }

    @Cases.Says(STATUS)
    static void p55_status_noImageKeepsIt() {
        BitWells x = new BitWells();
        Cases.refused("no what", Cases.WRONG, () -> x.told(8));
        x.image();
        Cases.refused("no what", Cases.WRONG, () -> x.told(8));
        Cases.refused("no well", Cases.NO_ELEMENT, () -> x.well(0, 0));
        x.restore();
        Cases.due("arguments", 2, x.status(1));
        Cases.due("elements", 1, x.status(0));
    }

    @Cases.Says(STATUS)
    static void p55_status_noCountryClearsIt() {
        BitWells x = new BitWells();
        Cases.refused("no what", Cases.WRONG, () -> x.told(8));
        Cases.refused("no well", Cases.NO_ELEMENT, () -> x.well(0, 0));
        x.country(0);
        Cases.due("arguments", 1, x.status(1));
        Cases.due("elements", 1, x.status(0));
    }

    @Cases.Says(STATUS)
    static void p55_status_whatAnswersNONEOrAFaultIsNotRefused() {
        BitWells x = Cases.land("place;place;well 0 a;");
        for (int i = 0; i < 31; i++) {
            x.feed(0, 0, 0, 0, 0);
        }
        x.goal(3);
        x.far(0, 1);
        x.ask(0, 0, 0);
        x.ask(0, 0, 0);
        x.diary(9, 0);
        x.restore();
        x.code(8, 0, -1);
        x.marks(256, 3);
        x.status(9);
        x.count(9);
        x.parts(0, 0);
        x.trick(0, 0);
        x.cant(0, 0);
        x.plan(1, 0, 0);
        x.riders(1, 1, 1);
        x.tour(1, 1);
        Cases.due("elements", 0, x.status(0));
        Cases.due("arguments", 0, x.status(1));
    }

    @Cases.Says(STATUS)
    static void p55_status_500Refusals() {
        BitWells x = new BitWells();
        for (int i = 0; i < 250; i++) {
            Cases.refused("no well", Cases.NO_ELEMENT, () -> x.well(0, 0));
            Cases.refused("no what", Cases.WRONG, () -> x.told(-1));
        }
        Cases.due("elements", 250, x.status(0));
        Cases.due("arguments", 250, x.status(1));
    }

    @Cases.Says(COUNT)
    static void p56_count_fromNoneToTheMost() {
        BitWells x = new BitWells();
        Cases.due("images", 0, x.count(0));
        Cases.due("bytes", 0, x.count(1));
        for (int i = 1; i <= 4; i++) {
            x.image();
            Cases.due("images", Math.min(i, 3), x.count(0));
        }
        for (int i = 1; i <= 31; i++) {
            x.feed(0, 0, 0, 0, 0);
            Cases.due("bytes", Math.min(20 * i, 600), x.count(1));
        }
    }

    @Cases.Says(COUNT)
    static void p56_count_others() {
        BitWells x = Cases.rich();
        Cases.due("2", -1, x.count(2));
        Cases.due("-1", -1, x.count(-1));
        Cases.due("images", 1, x.count(0));
        Cases.due("bytes", 20, x.count(1));
    }

    @Cases.Says(COUNT)
    static void p56_count_goneOnes() {
        BitWells x = Cases.rich();
        x.restore();
        Cases.due("images", 0, x.count(0));
        x.goal(0);
        Cases.due("bytes", 0, x.count(1));
        x.image();
        x.country(0);
        Cases.due("images of another country", 0, x.count(0));
    }

    // ---- 512 calls

    @Cases.Says(CALLS)
    static void p01_calls_the512thIsAnsweredAsTheFirst() {
        BitWells x = new BitWells();
        for (int i = 0; i < 511; i++) {
            Cases.due("call " + i, 0xFFFF, x.left());
        }
        Cases.due("the 512th", 0xFFFF, x.left());
    }

    @Cases.Says(CALLS)
    static void p01_calls_512ThatChangeAll() {
        BitWells x = new BitWells();
        for (int i = 0; i < 73; i++) {
            Cases.due("feed", 20, x.feed(0x61746F6D, 0x7320323B, 0x706C6163, 0x653B7765, 0x6C6C2030));
            x.feed(0x2061623B, 0x69732031, 0x3B202020, 0x20202020, 0x20202020);
            Cases.due("country", 1, x.country(29));
            x.feed(0x61202020, 0x20202020, 0x20202020, 0x20202020, 0x20202020);
            Cases.due("question", 1, x.question(0, 20));
            Cases.due("ask", 1, x.ask(0, 0, i));
            Cases.due("left", 10, x.left());
        }
        Cases.due("the 512th", 1, x.told(6));
    }
}
