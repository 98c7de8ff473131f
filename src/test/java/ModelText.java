import java.util.List;
import java.util.regex.Matcher;
import java.util.regex.Pattern;

/** Where the FAULT of a TEXT is, by a pattern for TOKENS and the row of what can stand. */
final class ModelText {
    private static final Pattern TOKEN = Pattern.compile(" *([a-z]+|[0-9]+|;|$|.)", Pattern.DOTALL);
    private static final List<String> KINDS = List.of("lock", "rope", "chain", "old", "rusted", "nail", "bolt");
    private static final List<String> OPTIONS = List.of("time", "gives", "wants", "binds", "hands", "after");
    private static final int[] LEAST = {1, 0, 0, 0, 0, 0};
    private static final int[] MOST = {60, 9, 40, 3, 2, 0};

    private final String text;
    private final Matcher matcher;
    private int locks;
    private String token = "";
    private int place = 0;

    ModelText(String text, int locks) {
        this.text = text;
        this.matcher = TOKEN.matcher(text);
        this.locks = locks;
    }

    private void next() {
        if (matcher.find()) {
            token = matcher.group(1);
            place = matcher.start(1);
        } else {
            token = "";
            place = text.length();
        }
    }

    private boolean number(int least, int most) {
        if (!token.matches("[0-9]+")) {
            return false;
        }
        String digits = token.replaceFirst("^0+(?=.)", "");
        if (digits.length() > 4 || Integer.parseInt(digits) < least || Integer.parseInt(digits) > most) {
            return false;
        }
        next();
        return true;
    }

    private boolean item() {
        if (List.of("tools", "spare", "goal").contains(token)) {
            int most = token.equals("tools") ? 15 : token.equals("spare") ? 40 : (1 << locks) - 1;
            next();
            return number(0, most);
        }
        if (!KINDS.contains(token) || locks == 10) {
            return false;
        }
        int most = (1 << locks) - 1;
        locks++;
        next();
        int option = 0;
        while (OPTIONS.indexOf(token) >= option) {
            int which = OPTIONS.indexOf(token);
            next();
            if (!number(LEAST[which], which == 5 ? most : MOST[which])) {
                return false;
            }
            option = which + 1;
        }
        return true;
    }

    int read() {
        next();
        for (int items = 1; item(); items++) {
            if (token.isEmpty()) {
                return items;
            }
            if (!token.equals(";")) {
                return -1 - place;
            }
            next();
        }
        return -1 - place;
    }
}
