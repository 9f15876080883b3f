import java.math.BigInteger;
import java.util.List;

/** The tokens of a text, taken one by one, for PlainModel. */
final class ModelText {
    private final String text;
    private final List<int[]> tokens;
    private int at;

    ModelText(String text, List<int[]> tokens) {
        this.text = text;
        this.tokens = tokens;
    }

    int place() {
        return tokens.get(at)[0];
    }

    boolean isEnd() {
        return at == tokens.size() - 1;
    }

    private String token() {
        return text.substring(tokens.get(at)[0], tokens.get(at)[1]);
    }

    boolean takes(String word) {
        boolean is = token().equals(word);
        at += is ? 1 : 0;
        return is;
    }

    boolean takesUpTo(int most, int[] row, int i) {
        boolean is = token().matches("[0-9]+") && new BigInteger(token()).compareTo(BigInteger.valueOf(most)) <= 0;
        if (is) {
            row[i] = new BigInteger(token()).intValue();
            at++;
        }
        return is;
    }
}
