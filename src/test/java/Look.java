/** What can be asked of an object, as texts. */
final class Look {
    private Look() {
    }

    /** The word becomes these signs: the last answer. */
    static int feed(RingBases x, String signs) {
        x.clear();
        int last = 0;
        for (int i = 0; i < signs.length(); i++) {
            last = x.feed(signs.charAt(i));
        }
        return last;
    }

    static String normal(RingBases x) {
        StringBuilder row = new StringBuilder();
        int figure = x.normal(0);
        for (int k = 1; figure >= 0; k++) {
            row.append(figure);
            figure = x.normal(k);
        }
        return row.append(figure == -1 ? "" : " refused " + figure).toString();
    }

    static String next(RingBases x) {
        StringBuilder row = new StringBuilder();
        int figure = x.next(0);
        for (int k = 1; figure >= 0; k++) {
            row.append(figure);
            figure = x.next(k);
        }
        return row.append(figure == -1 ? "" : " refused " + figure).toString();
    }

    /** What a shelf has written, by figure(). */
    static String written(RingBases x, int shelf) {
        StringBuilder signs = new StringBuilder();
        int behind = x.shelf(shelf, 4);
        for (int place = x.shelf(shelf, 3) - 1; place >= -behind; place--) {
            signs.append(place == -1 ? "." : "").append(x.figure(shelf, place));
        }
        return signs.toString();
    }

    /** The base and the shelves: what undo() and the images bring back. */
    static String state(RingBases x) {
        StringBuilder state = new StringBuilder();
        state.append(x.told(0)).append(',').append(x.told(1) - 10);
        for (int shelf = 0; shelf < 4; shelf++) {
            state.append(' ').append(x.shelf(shelf, 0)).append(',').append(x.shelf(shelf, 1));
        }
        return state.toString();
    }

    /** All that there is in an object; the object is used up by it, with some 400 calls at most. */
    static String all(RingBases x) {
        StringBuilder all = new StringBuilder();
        all.append(state(x)).append(" word ").append(aboutWord(x)).append(" undoable ").append(x.told(11));
        int left = x.undo();
        for (int i = 0; left >= 0 && i < 20; i++) {
            all.append(" undone ").append(left).append(' ').append(state(x));
            left = x.undo();
        }
        for (int image = 0; image < 2; image++) {
            all.append(" image ").append(x.goBack(image)).append(' ').append(state(x));
        }
        // Words that are alike in one base are told apart by others.
        x.base(9, 9);
        all.append(" in 9,9 ").append(aboutWord(x));
        x.base(1, 1);
        all.append(" in 1,1 ").append(aboutWord(x));
        all.append(" a point ").append(x.feed('.')).append(" signs ").append(x.clear());
        return all.toString();
    }

    private static String aboutWord(RingBases x) {
        StringBuilder about = new StringBuilder();
        for (int what = 4; what <= 10; what++) {
            about.append(x.told(what)).append(' ');
        }
        return about.append(next(x)).toString();
    }
}
