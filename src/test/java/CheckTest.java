import java.lang.reflect.Field;

/**
 * Promise 18 says what check() would tell. No run of calls was found in which it tells 0, so the sites'
 * states are put in by force; this test alone knows how the program holds them.
 */
public final class CheckTest {
    private static final int NO_TRANSACTION = -1;
    private static final int ALL_YES = 7;

    public static void main(String[] args) throws ReflectiveOperationException {
        Runs runs = new Runs("CheckTest");
        runs.due("all COMMITTED", check(ALL_YES, 4, 4, 4), 1);
        runs.due("all ABORTED", check(ALL_YES, 5, 5, 5), 1);
        runs.due("COMMITTED, and others that are not decided", check(ALL_YES, 4, 1, 2), 1);
        runs.due("COMMITTED, and one that is ready to abort", check(ALL_YES, 3, 4, 2), 1);
        runs.due("ABORTED, and others that are not decided", check(ALL_YES, 5, 0, 3), 1);
        runs.due("the first COMMITTED, the last ABORTED", check(ALL_YES, 4, 1, 5), 0);
        runs.due("the first ABORTED, the last COMMITTED", check(ALL_YES, 5, 1, 4), 0);
        runs.due("one in the midst ABORTED", check(ALL_YES, 4, 5, 4), 0);
        runs.due("one in the midst COMMITTED", check(ALL_YES, 5, 4, 5), 0);
        runs.due("COMMITTED, and the last voted no", check(3, 4, 4, 1), 0);
        runs.due("COMMITTED, and the first voted no", check(6, 1, 4, 4), 0);
        runs.due("COMMITTED, and all but it voted no", check(2, 0, 4, 0), 0);
        runs.due("voted no, and none is COMMITTED", check(5, 1, 5, 2), 1);
        runs.due("no site voted when there is no transaction", check(NO_TRANSACTION, 4, 4, 4), 1);
        runs.end();
    }

    private static int check(int votes, int... states) throws ReflectiveOperationException {
        CommitSites x = new CommitSites();
        for (int i = 0; i < states.length; i++) {
            x.site(1);
        }
        if (votes != NO_TRANSACTION) {
            x.begin(0, votes);
        }
        for (int i = 0; i < states.length; i++) {
            force(x, i, states[i]);
        }
        return x.check();
    }

    private static void force(CommitSites x, int i, int state) throws ReflectiveOperationException {
        Field sites = CommitSites.class.getDeclaredField("sites");
        sites.setAccessible(true);
        Object site = ((Object[]) sites.get(x))[i];
        Field held = site.getClass().getDeclaredField("state");
        held.setAccessible(true);
        held.setInt(site, state);
    }
}
