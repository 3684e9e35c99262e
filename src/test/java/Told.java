/** Makes desks from texts, and gives calls that throw a number. */
final class Told {
    static final int OUT_OF_BOUNDS = -100;
    static final int NO_SUCH_ELEMENT = -101;

    private Told() {
    }

    /** Feeds a text, with blanks behind it up to twenty bytes; answers what the last feed answered. */
    static int feed(ModeDesk desk, String text) {
        int answer = 0;
        for (int at = 0; at < text.length(); at += 20) {
            int[] fours = fours(text, at);
            answer = desk.feed(fours[0], fours[1], fours[2], fours[3], fours[4]);
        }
        return answer;
    }

    static int[] fours(String text, int at) {
        int[] fours = new int[5];
        for (int i = 0; i < 20; i++) {
            int c = at + i < text.length() ? text.charAt(at + i) : ' ';
            fours[i / 4] = fours[i / 4] << 8 | c;
        }
        return fours;
    }

    static int text(ModeDesk desk, String text) {
        feed(desk, text);
        return desk.text(text.length());
    }

    static ModeDesk desk(String text) {
        ModeDesk desk = new ModeDesk();
        if (text(desk, text) < 0) {
            throw new IllegalArgumentException(text);
        }
        return desk;
    }

    static int place(ModeDesk desk, int p, int what) {
        try {
            return desk.place(p, what);
        } catch (IndexOutOfBoundsException e) {
            return e.getClass() == IndexOutOfBoundsException.class ? OUT_OF_BOUNDS : -200;
        } catch (java.util.NoSuchElementException e) {
            return NO_SUCH_ELEMENT;
        }
    }

    static int place(PlainDesk desk, int p, int what) {
        try {
            return desk.place(p, what);
        } catch (IndexOutOfBoundsException e) {
            return OUT_OF_BOUNDS;
        } catch (java.util.NoSuchElementException e) {
            return NO_SUCH_ELEMENT;
        }
    }
}
