/** Pieces of lists that several tests tell. */
final class Texts {
    static final String WHEN = "whistle west when ";
    /** The legger p who is weak, and q who is strong. */
    static final String TWO = "legger p strength 1 lungs 1; legger q strength 9 lungs 9; ";

    private Texts() {
    }

    static String times(int n, String text) {
        return text.repeat(n);
    }

    /** A text n times, with a number from 0 in it each time. */
    static String lines(int n, String start, String end) {
        StringBuilder text = new StringBuilder();
        for (int i = 0; i < n; i++) {
            text.append(start).append(i).append(end);
        }
        return text.toString();
    }

    /** The bores b0, b1 and so on, of 12 places each. */
    static String bores(int n) {
        return lines(n, "bore b", " long 12 low 0; ");
    }

    /** A bore of so many places, 1 to 60, in which nobody loses a cap. */
    static String places(int n) {
        StringBuilder text = new StringBuilder();
        for (int left = n; left > 0; left -= 12) {
            text.append("bore a").append(left).append(" long ").append(Math.min(12, left)).append(" low 0; ");
        }
        return text.toString();
    }

    /** The leggers p, q, r and so on, by their strengths and lungs. */
    static String leggers(int... strengthAndLungs) {
        StringBuilder text = new StringBuilder();
        for (int i = 0; i < strengthAndLungs.length; i += 2) {
            text.append("legger ").append((char) ('p' + i / 2)).append(" strength ").append(strengthAndLungs[i])
                .append(" lungs ").append(strengthAndLungs[i + 1]).append("; ");
        }
        return text.toString();
    }
}
