import java.util.Random;

/** Random lists, right and spoilt ones, compared with the model. The seed is fixed. */
public final class RandomListsTest {
    private static final int LISTS = 20000;

    public static void main(String[] args) {
        Check check = new Check();
        Random random = new Random(20261119);
        Lists lists = new Lists(random);
        int[] errors = new int[6];
        for (int i = 0; i < LISTS; i++) {
            String list = lists.list();
            String text = Lists.cut(i % 5 == 0 ? list : lists.spoilt(list));
            TunnelLeggers x = new TunnelLeggers();
            Check.tape(x, text);
            int[] due = new Model().learn(text);
            errors[due[0]]++;
            check.same("teach() of " + text, x.teach(), due[0]);
            check.same("errorAt() of " + text, x.errorAt(), due[1]);
            check.same("count(13)", x.count(13), 0);
        }
        for (int error = 0; error < errors.length; error++) {
            check.same("lists with the error " + error + " are many", errors[error] > 20, true);
        }
        check.end();
    }
}
