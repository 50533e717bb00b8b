import java.util.ArrayList;
import java.util.HashMap;
import java.util.List;
import java.util.Map;

/** The document once more, by texts and by trying all: slow, and written apart from the class. */
final class Model {
    static final String SIGNS = "yntud.";

    private static final Map<String, String> SHORTEST = new HashMap<>();
    private static final List<List<String>> TEXTS = new ArrayList<>(List.of(List.of("")));

    String page = "";
    String text = "";
    int snow, changed, taken, written;
    List<Integer> kinds = new ArrayList<>();
    List<Object[]> told = new ArrayList<>();
    Object[] image;

    /** Heard WORDS, VALUE, whether she shut, of an order of WORDS as it is READ. */
    static int[] read(String order, int kind) {
        int value = 0, pauses = 0;
        boolean turned = false;
        for (int i = 0; i < order.length(); i++) {
            char c = order.charAt(i);
            if (c == 'y' || c == 'n') {
                boolean more = c == 'y' ^ turned;
                value = more ? value + 1 : value - 1;
                turned = false;
            }
            if (c == 't') turned ^= true;
            if (c == 'u') value *= -1;
            if (c == 'd') value += 1;
            if (c == '.') pauses += 1;
            boolean shuts = value <= -2
                || c == 'd' && (kind == 1 || kind == 4)
                || c == '.' && pauses == 2 && kind == 3
                || value >= 2 && kind == 4;
            if (shuts && kind != 2) return new int[] {i + 1, value, 1};
        }
        return new int[] {order.length(), value, 0};
    }

    static int[] readLetter(String text, int snow, int kind, boolean fromTop) {
        if (kind == 2) return read(text, 2);
        String order = fromTop ? text : new StringBuilder(text).reverse().toString();
        return read(order.substring(0, Math.min(snow, order.length())), kind);
    }

    /** All texts of so many WORDS, the first by numbers ahead. */
    static List<String> textsOf(int size) {
        while (TEXTS.size() <= size) {
            List<String> longer = new ArrayList<>();
            for (String ahead : TEXTS.get(TEXTS.size() - 1)) for (char c : SIGNS.toCharArray()) longer.add(ahead + c);
            TEXTS.add(longer);
        }
        return TEXTS.get(size);
    }

    static String shortest(int kind, int end, int top) {
        return SHORTEST.computeIfAbsent(kind + " " + end + " " + top, key -> {
            for (int size = 1; size <= 5; size++) {
                for (String text : textsOf(size)) {
                    int[] fromEnd = readLetter(text, 9, kind, false), fromTop = readLetter(text, 9, kind, true);
                    if (fromEnd[1] == end && fromTop[1] == top && fromEnd[2] + fromTop[2] == 0) return text;
                }
            }
            return "";
        });
    }

    static int endings(String text, int known, int words, int value) {
        String last = text.substring(text.length() - known);
        int sum = 0;
        for (String ahead : textsOf(words - known)) if (read(ahead + last, 2)[1] == value) sum++;
        return sum;
    }

    static long[] days(int letters, int seed, int[] kinds, int snow) {
        long s = seed, shut = 0, values = 1000;
        for (int day = 0; day < letters; day++) {
            s = next(s);
            long size = 1 + s / 65536 % 9;
            StringBuilder text = new StringBuilder();
            for (long i = 0; i < size; i++) {
                s = next(s);
                text.append(SIGNS.charAt((int) (s / 65536 % 6)));
            }
            s = next(s);
            int[] heard = readLetter(text.toString(), snow, kinds[(int) (s / 65536 % kinds.length)], false);
            shut += heard[2];
            values += heard[1];
        }
        return new long[] {shut, values, s};
    }

    private static long next(long seed) {
        return java.math.BigInteger.valueOf(seed).multiply(java.math.BigInteger.valueOf(1103515245))
            .add(java.math.BigInteger.valueOf(12345)).mod(java.math.BigInteger.ONE.shiftLeft(31)).longValue();
    }

    int letter(int code) {
        if (code < 1 || code > 126) return Due.OUTSIDE;
        if (page.length() == 12) return Due.FULL;
        page += (char) code;
        return page.length();
    }

    int blank() {
        int had = page.length();
        page = "";
        return had;
    }

    int fault() {
        for (int size = 1; size <= page.length(); size++) {
            String part = page.substring(0, size);
            if (!part.matches("[yntud.]{1,9}(;[1-9]?)?")) return size - 1;
        }
        return page.length();
    }

    int take() {
        if (!page.matches("[yntud.]{1,9};[1-9]")) return Due.STATE;
        text = page.substring(0, page.length() - 2);
        snow = page.charAt(page.length() - 1) - '0';
        page = "";
        kinds.clear();
        told.clear();
        image = null;
        changed = 0;
        taken++;
        return text.length();
    }

    int word(int place, int what) {
        if (place < 0 || place >= text.length()) return Due.UNKNOWN;
        switch (what) {
            case 0: return SIGNS.indexOf(text.charAt(place));
            case 1: return 100 + read(new StringBuilder(text.substring(place)).reverse().toString(), 2)[1];
            case 2: return 100 + read(text.substring(0, place + 1), 2)[1];
            default: return Due.OUTSIDE;
        }
    }

    int change(int place, int word) {
        if (place < 0 || place >= text.length()) return Due.UNKNOWN;
        if (word < 0 || word > 5) return Due.OUTSIDE;
        int was = word(place, 0);
        text = text.substring(0, place) + SIGNS.charAt(word) + text.substring(place + 1);
        changed++;
        return was;
    }

    int snow(int much) {
        if (much < 1 || much > 9) return Due.OUTSIDE;
        if (text.isEmpty()) return Due.STATE;
        int was = snow;
        snow = much;
        return was;
    }

    int listener(int kind) {
        if (kind < 0 || kind > 4) return Due.OUTSIDE;
        if (text.isEmpty()) return Due.STATE;
        if (kinds.size() == 4) return Due.FULL;
        kinds.add(kind);
        return kinds.size() - 1;
    }

    int about(int listener, int what) {
        if (listener < 0 || listener >= kinds.size()) return Due.UNKNOWN;
        if (what < 0 || what > 6) return Due.OUTSIDE;
        int kind = kinds.get(listener);
        if (what == 0) return kind;
        int[] heard = readLetter(text, snow, kind, what >= 4);
        int part = (what - 1) % 3;
        return part == 1 ? heard[1] + 100 : heard[part];
    }

    int as(int listener, int kind) {
        if (listener < 0 || listener >= kinds.size()) return Due.UNKNOWN;
        if (kind < 0 || kind > 4) return Due.OUTSIDE;
        List<List<Integer>> such = List.of(List.of(0), List.of(0, 1), List.of(0, 2), List.of(0, 3), List.of(0, 1, 4));
        return such.get(kinds.get(listener)).contains(kind) ? listener : Due.NONE;
    }

    int write(int kind, int end, int top, int what) {
        if (kind < 0 || kind > 4 || end < -3 || end > 3 || top < -3 || top > 3) return Due.OUTSIDE;
        if (what != 0 && (what < 10 || what > 14)) return Due.OUTSIDE;
        if (written == 20) return Due.STATE;
        written++;
        String found = shortest(kind, end, top);
        if (found.isEmpty()) return Due.NONE;
        if (what == 0) return found.length();
        return what - 10 < found.length() ? SIGNS.indexOf(found.charAt(what - 10)) : Due.NONE;
    }

    int rest(int known, int words, int value) {
        if (known < 0 || known > text.length() || words < known || words - known > 5 || words < 1) return Due.OUTSIDE;
        if (value < -20 || value > 20) return Due.OUTSIDE;
        return text.isEmpty() ? Due.STATE : endings(text, known, words, value);
    }

    int tell(int words, boolean fromTop) {
        if (words < 0 || words > 9) return Due.OUTSIDE;
        if (text.isEmpty()) return Due.STATE;
        if (told.size() == 6) return Due.FULL;
        told.add(new Object[] {text, snow, words, fromTop});
        return told.size();
    }

    int forget() {
        int was = told.size();
        told.clear();
        return was;
    }

    int which() {
        int bits = 0;
        for (int kind = 0; kind < 5; kind++) {
            boolean can = true;
            for (Object[] t : told) {
                can &= readLetter((String) t[0], (Integer) t[1], kind, (Boolean) t[3])[0] == (Integer) t[2];
            }
            if (can) bits += 1 << kind;
        }
        return bits;
    }

    int ask() {
        if (text.isEmpty()) return Due.STATE;
        if (which() == 0) return Due.NONE;
        int[] worst = new int[2];
        for (int way = 0; way < 2; way++) {
            for (int words = 0; words <= 9; words++) {
                int left = 0;
                for (int kind = 0; kind < 5; kind++) {
                    boolean can = (which() >> kind) % 2 == 1;
                    if (can && readLetter(text, snow, kind, way == 1)[0] == words) left++;
                }
                worst[way] = Math.max(worst[way], left);
            }
        }
        return worst[0] <= worst[1] ? 0 : 1;
    }

    int days(int letters, int seed, int what) {
        if (letters < 1 || letters > 40 || seed < 0 || what < 0 || what > 2) return Due.OUTSIDE;
        if (kinds.isEmpty()) return Due.STATE;
        return (int) days(letters, seed, kinds.stream().mapToInt(k -> k).toArray(), snow)[what];
    }

    int image() {
        if (text.isEmpty()) return Due.STATE;
        image = new Object[] {text, snow, kinds.size(), changed, new ArrayList<>(told)};
        return text.length();
    }

    @SuppressWarnings("unchecked")
    int restore() {
        if (image == null) return Due.STATE;
        text = (String) image[0];
        snow = (Integer) image[1];
        kinds = new ArrayList<>(kinds.subList(0, (Integer) image[2]));
        changed = (Integer) image[3];
        told = new ArrayList<>((List<Object[]>) image[4]);
        return text.length();
    }

    int count(int what) {
        int shut = 0;
        for (int kind : kinds) shut += readLetter(text, snow, kind, false)[2];
        int[] all = {text.length(), snow, kinds.size(), shut, changed, told.size(), page.length(), taken, written};
        return what < 0 || what > 8 ? Due.OUTSIDE : all[what];
    }

    long digest() {
        List<Integer> all = new ArrayList<>();
        for (int i = 0; i < text.length(); i++) for (int what = 0; what < 3; what++) all.add(word(i, what));
        for (int i = 0; i < kinds.size(); i++) for (int what = 0; what < 7; what++) all.add(about(i, what));
        all.add(which());
        if (!text.isEmpty()) {
            all.add(ask());
            all.add(rest(0, 3, 1));
        }
        for (char c : page.toCharArray()) all.add((int) c);
        for (int what = 0; what < 9; what++) all.add(count(what));
        long h = 953;
        for (int number : all) h = h * 31 + number;
        return h;
    }
}
