/** Promises 20 and 21: images; and how long an object is used. */
final class PromisesOfImages extends BoundaryPart {
    PromisesOfImages(Boundaries to) {
        super(to);
    }

    @Override
    void run() {
        keep();
        goBack();
        whatItIs();
        lastCall();
    }

    private static RingBases changed(int times) {
        RingBases x = new RingBases();
        for (int i = 1; i <= times; i++) {
            x.put(0, i, -i);
        }
        return x;
    }

    private void keep() {
        to.sentence("Promise 20", "IMAGE i becomes what is so (nothing can be undone then): 1.");
        RingBases x = changed(9);
        to.is("the first image", x.keep(0), 1);
        to.is("nothing can be undone", x.told(11), 0);
        to.is("nothing is undone", x.undo(), NOT);
        isShelf("the shelf stays", x, 0, 9, -9);
        x.put(0, 10, 10);
        to.is("a change behind it can be undone", x.undo(), 0);
        isShelf("up to what was kept", x, 0, 9, -9);
        to.is("and no further", x.undo(), NOT);
        to.is("the last image", x.keep(1), 1);
        x.put(0, 11, 11);
        to.is("an image again", x.keep(0), 1);
        x.goBack(1);
        isShelf("the other one is as it was", x, 0, 9, -9);
        x.goBack(0);
        isShelf("the latest is kept", x, 0, 11, 11);

        to.sentence("Promise 20", "UNKNOWN.");
        for (int no : NO_IMAGES) {
            RingBases y = changed(3);
            to.is("keep(" + no + ")", y.keep(no), UNKNOWN);
            to.is("what can be undone stays", y.undo(), 2);
            to.is("no image 0", y.goBack(0), NOT);
            to.is("no image 1", y.goBack(1), NOT);
        }
    }

    private void goBack() {
        to.sentence("Promise 21", "What is so becomes IMAGE i (nothing can be undone then): 1.");
        RingBases x = changed(2);
        x.keep(1);
        for (int i = 0; i < 12; i++) {
            x.base(9, -7);
        }
        to.is("the last image", x.goBack(1), 1);
        to.isText("as it was kept", Look.state(x), "1,1 2,-2 0,0 0,0 0,0");
        to.is("nothing can be undone", x.told(11), 0);
        to.is("nothing is undone", x.undo(), NOT);
        x.put(0, 5, 5);
        to.is("a change behind it can be undone", x.undo(), 0);
        isShelf("up to the image", x, 0, 2, -2);
        to.is("and no further", x.undo(), NOT);
        x.put(0, 6, 6);
        to.is("the same image again", x.goBack(1), 1);
        isShelf("the image is still there", x, 0, 2, -2);
        to.is("at once again", x.goBack(1), 1);

        to.sentence("Promise 21", "UNKNOWN, NOT: it was not kept.");
        for (int no : NO_IMAGES) {
            to.is("goBack(" + no + ")", x.goBack(no), UNKNOWN);
        }
        RingBases y = changed(3);
        to.is("neither was kept, 0", y.goBack(0), NOT);
        to.is("neither was kept, 1", y.goBack(1), NOT);
        to.is("what can be undone stays", y.undo(), 1 + 1);
        y.keep(1);
        y.put(0, 7, 7);
        to.is("only the other was kept", y.goBack(0), NOT);
        isShelf("the shelf stays", y, 0, 7, 7);
        to.is("what can be undone stays", y.undo(), 0);
    }

    private void whatItIs() {
        to.withoutCase("What it is", "Numbers written in a base that is no whole number but a root of a small polynomial: the "
                + "base is told by two whole numbers, what is written are whole numbers and whole multiples of the base "
                + "together; which of two is greater is told exactly; each is written by the greatest figures that fit, "
                + "from the left, before a point and behind it, and either it ends or the same rest comes again, from "
                + "where on and how soon; words of figures are read, written anew as they ought to be, told well or not "
                + "by the rule that no end of theirs may pass what the number one is made of; sums, differences, "
                + "products; what stands beside a number in the other root; next word in the order of words, which is "
                + "the order of numbers; numbers by lots, what was done undone, images.",
                "\"Terms\" and the promises tell each of these again");
    }

    private void lastCall() {
        to.sentence("What it is", "An object is used for at most 512 calls after it has been made; what later calls answer is "
                + "free.");
        RingBases x = changed(494);
        to.is("call 495", x.told(11), 8);
        for (int left = 7; left >= 0; left--) {
            to.is("an undoing among the last calls", x.undo(), left);
            to.is("what was so by then", x.shelf(0, 0), 486 + left);
        }
        to.is("call 512", x.undo(), NOT);
        RingBases y = new RingBases();
        for (int i = 0; i < 508; i++) {
            y.feed('1');
        }
        to.is("call 509", y.feed('.'), FULL);
        to.is("call 510", y.clear(), 60);
        to.is("call 511", y.feed('.'), 1);
        to.is("call 512", y.told(7), 0);
    }
}
