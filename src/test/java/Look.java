/**
 * All that can be seen of an object from outside, as a text, so that two objects can be compared. What is promised
 * ends with an object's 512th call, so a look takes no call that it does not need.
 */
final class Look {
    private Look() {
    }

    /** What can be seen without changing anything. */
    static String at(TwoKerbs x) {
        return kerbs(x) + standing(x);
    }

    /** All of it, with what can be undone, the images and the text: the object is used up by that. */
    static String through(TwoKerbs x) {
        StringBuilder seen = new StringBuilder(at(x));
        int left = x.undo();
        for (int i = 0; i < 20 && left >= 0; i++) {
            seen.append("undo ").append(left).append(' ').append(standing(x));
            left = x.undo();
        }
        for (int image = 0; image <= 1; image++) {
            seen.append("back ").append(x.back(image)).append(' ').append(standing(x));
        }
        return seen.append("towns ").append(x.towns()).append(' ').append(at(x)).toString();
    }

    /** What only a text can change. */
    private static String kerbs(TwoKerbs x) {
        StringBuilder seen = new StringBuilder();
        int kerbs = x.count(0);
        for (int k = 0; k < kerbs; k++) {
            seen.append("kerb");
            for (int what = 0; what <= 3; what++) {
                seen.append(' ').append(x.kerb(k, what));
            }
            seen.append('\n');
        }
        return seen.toString();
    }

    private static String standing(TwoKerbs x) {
        StringBuilder seen = new StringBuilder("count");
        for (int what = 0; what <= 7; what++) {
            seen.append(' ').append(x.count(what));
        }
        seen.append(" now");
        for (int what = 0; what <= 4; what++) {
            seen.append(' ').append(x.now(what));
        }
        int things = x.count(1);
        for (int t = 0; t < things; t++) {
            seen.append(" thing");
            for (int what = 0; what <= 3; what++) {
                seen.append(' ').append(x.thing(t, what));
            }
        }
        seen.append(" trace ").append(x.trace()).append(" began ").append(x.began());
        return seen.append(" laws ").append(x.laws(0)).append(' ').append(x.laws(1)).append('\n').toString();
    }
}
